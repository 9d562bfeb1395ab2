/** All that calls can tell of a ring without changing it, but for the TAPE and THE IMAGE, as a text. */
final class Picture {
    private Picture() {
    }

    static String of(PromenadeRing ring) {
        StringBuilder told = new StringBuilder();
        for (int what = 0; what <= 10; what++) {
            told.append(" count ").append(ring.count(what));
        }
        for (int w = 0; w < ring.count(0); w++) {
            told.append(" walker");
            for (int what = 0; what <= 13; what++) {
                told.append(' ').append(ring.walker(w, what));
            }
        }
        for (int s = 0; s < ring.count(1); s++) {
            told.append(" shelter ").append(ring.shelter(s, 0)).append(' ').append(ring.shelter(s, 1));
        }
        for (int ago = 0; ago < ring.count(9); ago++) {
            told.append(" row");
            for (int what = 0; what <= 3; what++) {
                told.append(' ').append(ring.log(ago, what));
            }
        }
        int seed = ring.seed(1);
        ring.seed(seed);
        told.append(" seed ").append(seed).append(" fault ").append(ring.fault());
        told.append(" mist ").append(ring.odds(1, 1)).append(" trial ").append(ring.trial(9, false));
        return told.toString();
    }
}

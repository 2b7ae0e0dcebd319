/** Numbers and texts at random, the same for the same start. */
final class RandomTexts {
    private long state;

    RandomTexts(long start) {
        state = start;
    }

    int below(int n) {
        state = state * 6364136223846793005L + 1442695040888963407L;
        return (int) ((state >>> 33) % n);
    }

    boolean oneIn(int n) {
        return below(n) == 0;
    }

    /** Of a city, mostly without a fault. */
    String text() {
        StringBuilder s = city();
        int changes = oneIn(3) ? 1 + below(3) : 0;
        for (int k = 0; k < changes; k++) {
            change(s);
        }
        return s.length() > 220 ? s.substring(0, 220) : s.toString();
    }

    StringBuilder city() {
        StringBuilder s = new StringBuilder();
        int minutes = oneIn(3) ? 10 + below(990) : 200 + below(300);
        s.append('c').append(minutes).append(';');
        int persons = oneIn(3) ? below(7) : 3 + below(4);
        for (int p = 0; p < persons; p++) {
            s.append('p').append(below(oneIn(8) ? 1000 : 100)).append(';');
        }
        int jobs = persons == 0 ? 0 : below(9);
        for (int j = 0; j < jobs; j++) {
            int behind = j == 0 || oneIn(2) ? 9 : below(j);
            s.append('j').append(below(persons)).append(' ').append(1 + below(oneIn(3) ? 99 : 20)).append(' ').append(behind).append(';');
        }
        for (int p = 0; p < persons && jobs > 0; p++) {
            if (oneIn(3)) {
                s.append('w').append(p).append(' ').append(below(jobs)).append(';');
            }
        }
        return s;
    }

    void change(StringBuilder s) {
        String letters = "cpjw;0123456789 9 ;x";
        char letter = oneIn(20) ? (char) below(256) : letters.charAt(below(letters.length()));
        int at = below(s.length());
        switch (below(3)) {
            case 0: s.insert(at, letter); break;
            case 1: s.setCharAt(at, letter); break;
            default: if (s.length() > 1) s.deleteCharAt(at);
        }
    }
}

/** Streets to begin a test with. Each has something in every part of its state, so that a change is seen. */
final class Streets {
    private Streets() {
    }

    interface Made {
        SweptRound street();
    }

    interface Call {
        int on(SweptRound x);
    }

    /** Five YARDS, so that the last has none OPPOSITE; its IMAGE is of another street. SHEET 2 is missing. */
    static SweptRound some() {
        SweptRound x = new SweptRound();
        x.yard(1, 9, 9);
        x.tell(1);
        Due.feed(x, "6");
        x.image();
        Due.feed(x, "6");
        Due.read(x, 0, "y+d%5+x/99");
        x.yard(14, 60, -1);
        x.yard(25, 300, 10);
        x.yard(47, 120, 40);
        x.yard(68, 77, -1);
        x.days(3);
        Due.read(x, 1, "(d+s*3+e/9)%4=1");
        x.set(0, 3);
        x.set(1, 20);
        x.set(2, 50);
        x.seed(99);
        Due.feed(x, "7+");
        x.check();
        x.tell(8);
        x.tell(9);
        Due.fill(x, 0, 8, 5, -6, 7);
        Due.fill(x, 1, 16, 900, 800, 700, 600, 500);
        Due.fill(x, 3, 32, 123, 70000);
        x.voice(3, 3, 11);
        return x;
    }

    /** Nothing more has a place: 12 YARDS, 50 bytes, 20 numbers that wait, a SHEET of 40. */
    static SweptRound full() {
        SweptRound x = new SweptRound();
        Due.read(x, 0, "y*d%4+1");
        for (int i = 0; i < 12; i++) {
            x.yard(i * 6 % 70, 40 + 60 * i, i % 3 - 1 + 6 * (i % 3));
        }
        x.set(0, 1);
        x.image();
        x.days(8);
        for (int i = 0; i < 6; i++) {
            Due.feed(x, "((1+2)*3");
        }
        Due.feed(x, "-4");
        for (int i = 0; i < 20; i++) {
            x.tell(500 + i);
        }
        x.sheet(0, 16, 40);
        for (int i = 0; i < 40; i += 3) {
            x.put(0, i, 3 * i + 1);
        }
        Due.fill(x, 3, 16, 1, 1, 0);
        x.voice(11, 1, 5);
        return x;
    }

    /** On DAY 9999, the last. */
    static SweptRound last() {
        SweptRound x = new SweptRound();
        for (int i = 0; i < 166; i++) {
            x.days(60);
        }
        x.days(39);
        x.image();
        x.yard(3, 40, 0);
        x.yard(0, 50, -1);
        return x;
    }

    static SweptRound empty() {
        return new SweptRound();
    }
}

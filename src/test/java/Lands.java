/** Lands that the tests of boundaries begin with. */
final class Lands {
    private Lands() {
    }

    /**
     * Of everything something, so that whatever a refused call changed would show: four villages (the
     * second RUINED), body 0 proved, 1 fined, 2 to 4 lie, DAY 2, two SEEN, IMAGE 1 of the day before,
     * rows in SHEETS 0 to 2, a text and a read with a FAULT behind it, a line begun on THE TAPE.
     */
    static ProofFine rich() {
        ProofFine x = Check.told("village 40 3;village 9 0;village 0 2;village 70 1;"
            + "plain 0 2 1;mixed 1 0 0;price 6;fine 30;round 2;");
        x.nights(1);
        x.see(1, 1, 1);
        x.keep(1);
        x.nights(1);
        x.find(1, 2, 1, 0);
        x.find(2, 3, 0, 5);
        x.find(3, 0, 0, 0);
        x.see(4, 9, 2);
        x.sheet(0, 0, 5);
        x.lay(0, 0, 3);
        x.lay(0, 3, 2);
        x.sheet(1, 1, 4);
        x.lay(1, 1, 1);
        x.sheet(2, 2, 2);
        x.lay(2, 0, 2);
        x.read(0, 0, 4, 1);
        Check.tell(x, "fine 61;");
        feed(x, "price 7;");
        return x;
    }

    /** The rich one with a sixth body. */
    static ProofFine crowded() {
        ProofFine x = rich();
        x.find(0, 1, 9, 9);
        return x;
    }

    static void feed(ProofFine x, String text) {
        for (char c : text.toCharArray()) {
            x.feed(c);
        }
    }
}

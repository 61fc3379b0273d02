/** Nets that more than one test starts with. */
final class Nets {
    private Nets() {
    }

    /** 0 - 1 - 2 - 3 - 4, with 5 on 2 and 6 on the source; node n but the source has the use 2 to the n. */
    static Desk branched() {
        Desk x = new Desk();
        x.addNode(0, 2);
        x.addNode(1, 4);
        x.addNode(2, 8);
        x.addNode(3, 16);
        x.addNode(2, 32);
        x.addNode(0, 64);
        return x;
    }

    /** 16 nodes, each on the one before; node n has the use n. */
    static Desk line() {
        Desk x = new Desk();
        for (int node = 1; node <= 15; node++) {
            x.addNode(node - 1, node);
        }
        return x;
    }
}

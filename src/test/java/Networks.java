/** Networks that several tests start from. */
final class Networks {
    private Networks() {
    }

    /** Links by rows of two routers and a cost, all messages delivered. */
    static DiffusingRoutes settled(int routers, int[]... links) {
        DiffusingRoutes x = new DiffusingRoutes(routers);
        for (int[] link : links) {
            x.connect(link[0], link[1], link[2]);
        }
        x.run(200);
        return x;
    }

    /** 0 - 1 - 2 - .. with these costs, all messages delivered. */
    static DiffusingRoutes line(int... costs) {
        int[][] links = new int[costs.length][];
        for (int i = 0; i < costs.length; i++) {
            links[i] = new int[] {i, i + 1, costs[i]};
        }
        return settled(costs.length + 1, links);
    }

    /** All that is on the link from a to b now comes, one after the other. */
    static void deliverAll(DiffusingRoutes x, int a, int b) {
        int messages = x.flight(a, b);
        for (int i = 0; i < messages; i++) {
            x.deliver(a, b);
        }
    }

    /**
     * 0 - 1 - 2 with a dear link from 0 to 2; then the link from 1 to 2 becomes dear. So 1 asks of
     * 2, and 2 asks of 1; the messages of this change are on links.
     */
    static DiffusingRoutes dearTriangle() {
        DiffusingRoutes x = settled(3, new int[] {0, 1, 1}, new int[] {1, 2, 1},
                new int[] {0, 2, 5});
        x.connect(1, 2, 9);
        return x;
    }

    /** The ring 0 - 1 - 2 - 3 - 0; then 2 asks because of its link to 1, through which it went. */
    static DiffusingRoutes askingRing() {
        DiffusingRoutes x = settled(4, new int[] {0, 1, 1}, new int[] {1, 2, 1},
                new int[] {2, 3, 1}, new int[] {3, 0, 5});
        x.connect(1, 2, 20);
        return x;
    }

    /** As above, but 1, too, asks of 0, and 2 has heard it. */
    static DiffusingRoutes askedAndGrown() {
        DiffusingRoutes x = askingRing();
        x.connect(0, 1, 30);
        Check.comes("1 asks of 2, 3 and 0", x, 1, 2, Check.QUERY, Check.QUERY, Check.QUERY);
        Check.route("2 is asked and grown", x, 2, 0, 21, 2, 1, 4);
        return x;
    }
}

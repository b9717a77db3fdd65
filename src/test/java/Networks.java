/** Networks that several tests start from. */
final class Networks {
    private Networks() {
    }

    /** Links by rows of two routers and a cost, all messages delivered. */
    static DiffusingRoutes settled(int routers, int[]... links) {
        DiffusingRoutes x = new DiffusingRoutes(routers);
        for (int[] link : links) {
            x.connect(link[0], link[1], link[2]);
        }
        x.run(200);
        return x;
    }

    /** 0 - 1 - 2 - .. with these costs, all messages delivered. */
    static DiffusingRoutes line(int... costs) {
        int[][] links = new int[costs.length][];
        for (int i = 0; i < costs.length; i++) {
            links[i] = new int[] {i, i + 1, costs[i]};
        }
        return settled(costs.length + 1, links);
    }

    /** All that is on the link from a to b now comes, one after the other. */
    static void deliverAll(DiffusingRoutes x, int a, int b) {
        int messages = x.flight(a, b);
        for (int i = 0; i < messages; i++) {
            x.deliver(a, b);
        }
    }
}

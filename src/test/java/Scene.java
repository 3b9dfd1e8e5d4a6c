/** States to begin with: what calls refuse, and what they leave, is looked at in each. */
enum Scene {
    NEW, ORDINARY, FULL, SPARSE;

    ShareNets make() {
        ShareNets x = new ShareNets();
        switch (this) {
            case ORDINARY: makeOrdinary(x); break;
            case FULL: makeFull(x); break;
            case SPARSE: makeSparse(x); break;
            default: break;
        }
        return x;
    }

    /** Something of each thing; what is kept is unlike what is; a shelf whose share is gone. */
    private static void makeOrdinary(ShareNets x) {
        Check.readText(x, 0, "posts 6;road 0 1 2;");
        x.add(3, 1234, 7);
        x.out(4, 30, true);
        x.part(2);
        x.seed(99);
        x.keep();
        x.add(1, 5, 5);
        x.add(1, 5, 5);
        x.add(1, 5, 5);
        x.add(1, 5, 5);
        x.shelf(3, 0, 4);
        x.again();
        Check.readText(x, 0, "posts 5;ring 0 1 2 3 4;");
        Check.readText(x, 1, "posts 7;road 0 1 2 3;all 4 5 6;");
        Check.readText(x, 2, "posts 2;road 0 1;");
        x.out(3, 7, true);
        x.part(3);
        x.part(4);
        x.chance(0, 1, 4);
        x.chance(1, 2, 3);
        x.chance(2, 2, 1);
        x.add(2, 1, -1);
        x.add(0, 2, 1);
        x.add(1, 4567, 0);
        x.weight(1, 6);
        x.seed(-77);
        x.prove(1, 3);
        Check.feedText(x, "posts 4;road 0 3;");
        for (int sort = 0; sort < 3; sort++) {
            x.sheet(sort, sort, 3 + sort);
            x.put(sort, sort, 5);
        }
        x.shelf(0, 0, 1);
        x.shelf(1, 1, 2);
        x.act(0, 3, 5);
    }

    /** As much of each thing as there may be. */
    private static void makeFull(ShareNets x) {
        for (int i = 0; i < 20; i++) {
            x.feed(Check.eight("posts 10", 0, 8), 8);
        }
        for (int net = 0; net < 4; net++) {
            x.posts(net, 10);
            x.mixed(net, net + 1);
        }
        for (int form : new int[] {13, 15, 30, 31}) {
            x.out(4, form, true);
        }
        for (int part = 0; part < 5; part++) {
            x.part(9 - part);
            x.chance(part, 0, 4 - part);
        }
        for (int share = 0; share < 6; share++) {
            x.add(2, 9, -9);
            x.weight(share, 99);
        }
        x.prove(1, 4);
        for (int i = 0; i < 4; i++) {
            x.sheet(i, i, 40);
            x.put(i, 39, i);
            x.shelf(i, 0, 5 - i);
        }
        x.act(0, 3, 1);
        x.keep();
        x.seed(1);
    }

    /** There are things, but nothing in them: no form is in the heap, sheets have no items, nets are small. */
    private static void makeSparse(ShareNets x) {
        x.out(2, 0, true);
        x.out(2, 1, true);
        x.posts(1, 2);
        x.posts(2, 3);
        x.add(0, 3, 3);
        x.keep();
        x.prove(0, 1);
        for (int i = 0; i < 4; i++) {
            x.sheet(i, i, 0);
        }
        x.shelf(0, 1, 0);
        x.shelf(1, 0, 0);
        x.feed(' ', 1);
    }
}

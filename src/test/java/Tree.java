import java.util.ArrayList;
import java.util.Arrays;
import java.util.List;

/** A text as a tree that can be made otherwise: lengths follow, so that only what was meant is wrong. */
final class Tree {
    int sort;
    byte[] has;
    /** What stands for the length, if that is not to be the shortest. */
    byte[] head;
    /** What stands there instead of an item. */
    byte[] raw;
    List<Tree> parts;

    Tree(int sort, byte[] has) {
        this.sort = sort;
        this.has = has;
    }

    static Tree of(int what, byte[] text) {
        return of(Grammar.read(what, text));
    }

    private static Tree of(Grammar.Node node) {
        Tree tree = new Tree(node.sort, node.has);
        boolean nested = node.sort == 48 || node.sort >= 160;
        if (nested) {
            tree.parts = new ArrayList<>();
            for (Grammar.Node part : node.parts) {
                tree.parts.add(of(part));
            }
        }
        return tree;
    }

    byte[] inside() {
        if (parts == null) {
            return has;
        }
        byte[] all = {};
        for (Tree part : parts) {
            all = Texts.join(all, part.bytes());
        }
        return all;
    }

    byte[] bytes() {
        if (raw != null) {
            return raw;
        }
        byte[] inside = inside();
        byte[] shortest = Texts.item(sort, inside);
        return head == null ? shortest : Texts.join(new byte[] {(byte) sort}, head, inside);
    }

    Tree at(int... path) {
        Tree tree = this;
        for (int step : path) {
            tree = tree.parts.get(step);
        }
        return tree;
    }

    /** Where the item at a path begins. */
    int place(int... path) {
        int place = 0;
        Tree tree = this;
        for (int step : path) {
            place += tree.bytes().length - tree.inside().length;
            for (int i = 0; i < step; i++) {
                place += tree.parts.get(i).bytes().length;
            }
            tree = tree.parts.get(step);
        }
        return place;
    }

    int end(int... path) {
        return place(path) + at(path).bytes().length;
    }

    int items() {
        int n = 1;
        for (int i = 0; parts != null && i < parts.size(); i++) {
            n += parts.get(i).items();
        }
        return n;
    }

    /** The paths of all items, each in front of those that it has. */
    List<int[]> paths() {
        List<int[]> all = new ArrayList<>();
        addPaths(new int[0], all);
        return all;
    }

    private void addPaths(int[] here, List<int[]> all) {
        all.add(here);
        for (int i = 0; parts != null && i < parts.size(); i++) {
            int[] path = Arrays.copyOf(here, here.length + 1);
            path[here.length] = i;
            parts.get(i).addPaths(path, all);
        }
    }
}

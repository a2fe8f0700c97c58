/** Calls told as text, such as "plate(7, 5, 1, 2, 0)"; MIN and MAX are the least and the greatest int. */
final class Calls {
    private Calls() {
    }

    static int number(String word) {
        switch (word) {
            case "MIN": return Integer.MIN_VALUE;
            case "MAX": return Integer.MAX_VALUE;
            case "NONE": return -1;
            case "UNKNOWN": return -2;
            case "OUTSIDE": return -3;
            case "ROOM": return -4;
            case "true": return 1;
            case "false": return 0;
            default: return Integer.parseInt(word);
        }
    }

    static int answer(CuttingRules x, String call) {
        int open = call.indexOf('(');
        String inside = call.substring(open + 1, call.length() - 1).strip();
        String[] words = inside.isEmpty() ? new String[0] : inside.split(",");
        int[] n = new int[words.length];
        for (int i = 0; i < n.length; i++) {
            n[i] = number(words[i].strip());
        }
        return answer(x, call.substring(0, open), n);
    }

    private static int answer(CuttingRules x, String name, int[] n) {
        switch (name) {
            case "plate": return x.plate(n[0], n[1], n[2], n[3], n[4]);
            case "defect": return x.defect(n[0], n[1], n[2], n[3]);
            case "kind": return x.kind(n[0], n[1], n[2], n[3] == 1);
            case "value": return x.value(n[0], n[1]);
            case "worth": return x.worth(n[0], n[1], n[2], n[3], n[4]);
            case "pieces": return x.pieces();
            case "piece": return x.piece(n[0], n[1]);
            case "cuts": return x.cuts();
            case "cut": return x.cut(n[0], n[1]);
            case "waste": return x.waste();
            case "stock": return x.stock(n[0], n[1]);
            case "order": return x.order(n[0], n[1]);
            case "demand": return x.demand(n[0], n[1]);
            case "blade": return x.blade(n[0]);
            case "price": return x.price();
            case "bars": return x.bars();
            case "bar": return x.bar(n[0], n[1]);
            case "told": return x.told(n[0]);
            case "noKinds": return x.noKinds();
            case "noBars": return x.noBars();
            default: throw new IllegalArgumentException("there is no call " + name);
        }
    }
}

/** A call by its name and arguments, so that tests can keep calls in rows; a boolean counts 1 or 0. */
record Call(String name, int a, int b, int c) {
    static Call of(String name, int a) {
        return new Call(name, a, 0, 0);
    }

    static Call of(String name, int a, int b) {
        return new Call(name, a, b, 0);
    }

    static Call of(String name, int a, int b, int c) {
        return new Call(name, a, b, c);
    }

    int on(ActHouse house) {
        switch (name) {
            case "program": return house.program(a) ? 1 : 0;
            case "step": return house.step(a, b);
            case "act": return house.act(a, b, c);
            case "limit": return house.limit(a, b) ? 1 : 0;
            case "floor": return house.floor(a, b) ? 1 : 0;
            case "go": return house.go(a);
            case "fall": return house.fall(a);
            case "told": return house.told(a, b);
            case "register": return house.register(a);
            case "holds": return house.holds(a, b);
            case "value": return house.value(a, b);
            case "done": return house.done(a);
            case "log": return house.log(a, b);
            case "count": return house.count(a);
            default: throw new IllegalArgumentException(name);
        }
    }

    @Override
    public String toString() {
        return name + "(" + a + ", " + b + ", " + c + ")";
    }
}
